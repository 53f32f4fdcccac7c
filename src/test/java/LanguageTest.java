import java.io.IOException;
import java.lang.reflect.Constructor;
import java.lang.reflect.Field;
import java.lang.reflect.Method;
import java.lang.reflect.Modifier;
import java.nio.file.Files;
import java.nio.file.Path;
import java.util.ArrayList;
import java.util.List;
import java.util.Set;
import java.util.TreeSet;
import java.util.regex.Matcher;
import java.util.regex.Pattern;

/** The rules of LANGUAGE.md that can be looked up in the class and in its text. */
public final class LanguageTest {
    private static final String SOURCE = "src/main/java/WitnessWall.java";
    private static final List<String> FACE = List.of(
            "int letter(int)", "int blank()", "int fault()", "int wall()", "int witness(int,int)",
            "int as(int,int)", "int tells(int,int)", "int said(int)", "int having(int,int)",
            "int show(int,int,int)", "int be(int,int)", "int slip(int,int,int,int)", "int tear()",
            "int term(int)", "int keep(int)", "int peace(int)", "int worlds(int)",
            "int odds(int,int,int,int)", "int see(int,int,boolean)", "int forget()",
            "int drawn(int,int,int)", "int image()", "int restore()", "int count(int)", "long digest()");

    public static void main(String[] args) throws IOException {
        theFace();
        theClassesInside();
        theText(Files.readString(Path.of(SOURCE)));
        Due.end();
    }

    private static String told(Method method) {
        List<String> types = new ArrayList<>();
        for (Class<?> type : method.getParameterTypes()) {
            types.add(type.getName());
        }
        return method.getReturnType().getName() + " " + method.getName() + "(" + String.join(",", types) + ")";
    }

    private static void theFace() {
        Class<?> face = WitnessWall.class;
        Due.isTrue("public and final", Modifier.isPublic(face.getModifiers()) && Modifier.isFinal(face.getModifiers()));
        Set<String> open = new TreeSet<>();
        Set<String> names = new TreeSet<>();
        for (Method method : face.getDeclaredMethods()) {
            if (Modifier.isPublic(method.getModifiers())) {
                open.add(told(method));
                names.add(method.getName());
            }
        }
        Due.isTrue("the methods of the face: " + open, open.equals(new TreeSet<>(FACE)));
        for (Method method : face.getDeclaredMethods()) {
            boolean hidden = Modifier.isPrivate(method.getModifiers()) && !names.contains(method.getName());
            Due.isTrue("public or private by another name: " + method, open.contains(told(method)) || hidden);
        }
        Constructor<?>[] makers = face.getDeclaredConstructors();
        Due.isTrue("one public constructor", makers.length == 1
                && Modifier.isPublic(makers[0].getModifiers()) && makers[0].getParameterCount() == 0);
        Set<String> constants = Set.of("NONE", "UNKNOWN", "OUTSIDE", "STATE", "FULL");
        int found = 0;
        for (Field field : face.getDeclaredFields()) {
            boolean constant = constants.contains(field.getName());
            found += constant ? 1 : 0;
            Due.isTrue("hidden: " + field, Modifier.isPrivate(field.getModifiers()) != constant);
            Due.isTrue("static is final: " + field,
                    !Modifier.isStatic(field.getModifiers()) || Modifier.isFinal(field.getModifiers()));
        }
        Due.is("constants", found, 5);
        Due.is("NONE", WitnessWall.NONE, -1);
        Due.is("UNKNOWN", WitnessWall.UNKNOWN, -101);
        Due.is("OUTSIDE", WitnessWall.OUTSIDE, -102);
        Due.is("STATE", WitnessWall.STATE, -103);
        Due.is("FULL", WitnessWall.FULL, -104);
    }

    private static void theClassesInside() {
        Class<?>[] inside = WitnessWall.class.getDeclaredClasses();
        Due.isTrue("twelve classes at most: " + (inside.length + 1), inside.length < 12);
        for (Class<?> one : inside) {
            int how = one.getModifiers();
            Due.isTrue("static, not open: " + one,
                    Modifier.isStatic(how) && !Modifier.isPublic(how) && !Modifier.isProtected(how));
            int fields = 0;
            for (Field field : one.getDeclaredFields()) {
                fields += Modifier.isStatic(field.getModifiers()) ? 0 : 1;
                Due.isTrue("static is final: " + field,
                        !Modifier.isStatic(field.getModifiers()) || Modifier.isFinal(field.getModifiers()));
            }
            Due.isTrue("twenty fields at most: " + one, fields <= 20);
            for (Method method : one.getDeclaredMethods()) {
                Due.isTrue("seven parameters at most: " + method, method.getParameterCount() <= 7);
            }
        }
    }

    private static void theText(String source) {
        String code = source.replaceAll("(?s)/\\*.*?\\*/", "").replaceAll("//[^\\n]*", "");
        for (String word : List.of("throw", "try", "catch", "synchronized", "assert", "import", "package", "throws",
                "System", "instanceof", "equals", "hashCode", "toString", "double", "float", "native", "while", "do")) {
            Due.isTrue("not in the text: " + word, !Pattern.compile("\\b" + word + "\\b").matcher(code).find());
        }
        Due.isTrue("no lambda, no method reference", !code.contains("->") && !code.contains("::"));
        Due.isTrue("signs 9 to 126 alone", source.chars().allMatch(sign -> sign == '\n' || sign >= 32 && sign <= 126));
        Set<String> library = new TreeSet<>();
        Matcher call = Pattern.compile("\\b(Integer|Long|Math|Arrays|String)\\.(\\w+)").matcher(code);
        while (call.find()) {
            library.add(call.group());
        }
        Due.isTrue("the library: " + library, Set.of("Integer.bitCount", "Math.max").containsAll(library));
        theRoom(code);
        theLengths(code);
    }

    /** A method ends with the first brace that stands as far in as its first line does. */
    private static void theLengths(String code) {
        Matcher method = Pattern.compile("(?m)^( {4}| {8})(?! |if|for|switch|\\})[^\\n=]*\\) \\{\\n(?s:(.*?))^\\1\\}").matcher(code);
        int found = 0;
        while (method.find()) {
            long lines = method.group().lines().count();
            Due.isTrue("sixty lines at most: " + method.group().lines().findFirst().orElse("").trim(), lines <= 60);
            found++;
        }
        Due.isTrue("methods of the face and more: " + found, found > FACE.size());
    }

    /** Objects are made with the object itself alone: by a field's initialiser or the Hall's constructor. */
    private static void theRoom(String code) {
        for (String line : code.split("\n")) {
            boolean makes = Pattern.compile("\\bnew\\b").matcher(line).find();
            boolean withTheObject = line.matches("\\s+private final .* = new .*;")
                    || line.equals("                witnesses[one] = new Witness();");
            Due.isTrue("made with the object: " + line, !makes || withTheObject);
        }
    }
}
