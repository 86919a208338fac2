import java.io.IOException;
import java.lang.reflect.Constructor;
import java.lang.reflect.Field;
import java.lang.reflect.Method;
import java.lang.reflect.Modifier;
import java.nio.charset.StandardCharsets;
import java.nio.file.Files;
import java.nio.file.Path;
import java.util.Arrays;
import java.util.List;
import java.util.TreeSet;
import java.util.regex.Matcher;
import java.util.regex.Pattern;

// The rules of LANGUAGE.md that can be read off the class and its source's words. Runs in the project's folder.
public final class SourceRules {
    private static final String FACE = "begin(int,int)int rows(int,int)int columns(int,int)int names(int,int)int "
        + "swap(int,int,int,int)int append(int)int clear()int fault(int)int load()int value()int step(int,int)int "
        + "sum(int,int)int between(int,int,boolean)int returns(int,int,boolean)int token(int,int)int ring(int)int "
        + "ringAt(int)int count(int)int crooked()double ways(int,int)int sums(int)int cut(int)int "
        + "ifSwapped(int,int,int,int,int)int best(int)int undo()int save()int restore()int";
    private static final String[] FORBIDDEN = {"\\bthrow\\b", "\\btry\\b", "\\bcatch\\b", "\\bfinally\\b", "\\bassert\\b",
        "\\bsynchronized\\b", "\\bimport\\b", "\\bpackage\\b", "\\bprotected\\b", "\\binstanceof\\b", "\\bnative\\b",
        "\\bvolatile\\b", "\\bSystem\\b", "\\bMath\\b", "\\bThread\\b", "\\bRandom\\b", "->", "::", "\\bstatic \\{", "\"",
        "\\bwhile\\b", "\\bString\\b"};
    private static int wrong = 0;

    private static void due(boolean holds, String rule) {
        if (!holds) {
            wrong++;
            System.out.println("broken: " + rule);
        }
    }

    private static String told(Method method) {
        StringBuilder text = new StringBuilder(method.getName()).append('(');
        for (Class<?> type : method.getParameterTypes()) {
            text.append(text.charAt(text.length() - 1) == '(' ? "" : ",").append(type.getName());
        }
        return text.append(')').append(method.getReturnType().getName()).toString();
    }

    private static void checkFace() {
        Class<?> face = CrookedSums.class;
        due(Modifier.isPublic(face.getModifiers()) && Modifier.isFinal(face.getModifiers()), "the class is public and final");
        TreeSet<String> methods = new TreeSet<>();
        TreeSet<String> names = new TreeSet<>();
        for (Method method : face.getDeclaredMethods()) {
            if (!Modifier.isPrivate(method.getModifiers())) {
                due(Modifier.isPublic(method.getModifiers()), "public or private: " + method.getName());
                methods.add(told(method));
                names.add(method.getName());
            }
        }
        due(methods.equals(new TreeSet<>(Arrays.asList(FACE.split(" ")))), "the face's methods: " + methods);
        TreeSet<String> constants = new TreeSet<>();
        for (Field field : face.getDeclaredFields()) {
            if (!Modifier.isPrivate(field.getModifiers())) {
                due(Modifier.isPublic(field.getModifiers()) && field.getType() == int.class, "a constant: " + field);
                constants.add(field.getName());
            }
        }
        due(constants.equals(new TreeSet<>(List.of("INVALID_ARGUMENT", "NOT_POSSIBLE", "LIMIT_REACHED", "NOT_FOUND"))),
            "the face's constants: " + constants);
        Constructor<?>[] constructors = face.getDeclaredConstructors();
        due(constructors.length == 1 && constructors[0].getParameterCount() == 0, "one constructor");
        due(face.getDeclaredClasses().length <= 11, "at most twelve classes");
        checkMembers(face, names);
        for (Class<?> inside : face.getDeclaredClasses()) {
            due(Modifier.isStatic(inside.getModifiers()), "static inside: " + inside.getName());
            checkMembers(inside, names);
        }
    }

    private static void checkMembers(Class<?> some, TreeSet<String> publicNames) {
        for (Method method : some.getDeclaredMethods()) {
            due(method.getParameterCount() <= 7, "at most seven parameters: " + method);
            due(some == CrookedSums.class && Modifier.isPublic(method.getModifiers())
                || !publicNames.contains(method.getName()), "no other method bears a public one's name: " + method);
        }
        int fields = 0;
        for (Field field : some.getDeclaredFields()) {
            due(!Modifier.isStatic(field.getModifiers()) || Modifier.isFinal(field.getModifiers()), "final: " + field);
            fields += Modifier.isStatic(field.getModifiers()) ? 0 : 1;
        }
        due(fields <= 20, "at most twenty fields: " + some.getName());
    }

    private static void checkWords(String source) {
        for (int i = 0; i < source.length(); i++) {
            due(source.charAt(i) < 127, "signs 1 to 126 alone, position " + i);
        }
        String code = source.replaceAll("(?s)/\\*.*?\\*/", " ").replaceAll("//[^\n]*", " ");
        for (String word : FORBIDDEN) {
            due(!Pattern.compile(word).matcher(code).find(), "no " + word);
        }
        for (String line : code.split("\n")) {
            if (line.matches(".*\\bnew\\b.*")) {
                due(line.matches(" +private final [\\w\\[\\]]+ \\w+ = new .*;") || line.equals("                kept[i] = new Table();"),
                    "objects are made in constructors alone: " + line.trim());
            }
        }
        Matcher method = Pattern.compile("(?m)^( +)[\\w\\[\\] ]+\\([^;]*?\\) \\{$").matcher(code);
        while (method.find()) {
            int end = code.indexOf("\n" + method.group(1) + "}", method.start());
            String body = code.substring(method.start(), end);
            due(body.split("\n").length <= 60, "short methods: " + method.group().trim());
        }
    }

    public static void main(String[] args) throws IOException {
        checkFace();
        checkWords(new String(Files.readAllBytes(Path.of("src/main/java/CrookedSums.java")), StandardCharsets.ISO_8859_1));
        System.out.println(wrong == 0 ? "all rules hold" : wrong + " rules are broken");
        if (wrong != 0) {
            System.exit(1);
        }
    }
}
