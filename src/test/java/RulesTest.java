import java.io.IOException;
import java.lang.reflect.Field;
import java.lang.reflect.Method;
import java.lang.reflect.Modifier;
import java.nio.file.Files;
import java.nio.file.Path;
import java.util.ArrayList;
import java.util.List;
import java.util.Map;
import java.util.TreeMap;
import java.util.regex.Matcher;
import java.util.regex.Pattern;

/** What can be looked at from outside of the form that ../shared/LANGUAGE.md asks for. */
public final class RulesTest {
    private static final String[] FACE = {"kind(int,boolean)", "ofKind(int,int)", "procedure(int)", "tell(int,int)",
        "ofProcedure(int,int)", "node(int,int,int,int)", "body(int,int)", "ofNode(int,int)", "fault(int,int)",
        "prune(boolean)", "code(int,int,int)", "row(int,int,int)", "limits(int,int)", "run()", "ofRun(int)",
        "printed(int,int)", "exception(int,int)", "suppressed(int,int)", "trace(int,int)", "held(int)", "meanPrinted()",
        "many(int)", "wouldRun(int,int,int)", "catcher(int,int)", "faultsWith(int,int)", "digest()"};
    private static final String[] FORBIDDEN = {"->", "::", "\\bsynchronized\\b", "\\bfinally\\b", "\\bassert\\b",
        "\\bcatch\\b", "\\btry\\b", "Exact\\(", "\\bThread\\b", "\\bSystem\\.(?!arraycopy)", "\\bRandom\\b", "\\bObject\\b",
        "\\bstatic\\s*\\{", "\\bnative\\b", "\\bvolatile\\b", "\\btransient\\b", "\\bprotected\\b", "\\byield\\b",
        "\\bvar\\b", "\\bMath\\.random\\b", "\\bhashCode\\b", "\\btoString\\b", "\\bString\\b", "\\bInteger\\b"};

    private RulesTest() {
    }

    public static void main(String[] args) throws IOException {
        Check.about("the face");
        face();
        Check.about("the form");
        List<Class<?>> all = new ArrayList<>(List.of(UnwindTower.class.getDeclaredClasses()));
        all.add(UnwindTower.class);
        Check.same("at most 12 classes", all.size() <= 12, true);
        for (Class<?> one : all) {
            form(one);
        }
        text(Files.readString(Path.of("src/main/java/UnwindTower.java")));
        Check.end();
    }

    private static String signature(Method method) {
        StringBuilder text = new StringBuilder(method.getName()).append('(');
        for (Class<?> parameter : method.getParameterTypes()) {
            text.append(text.charAt(text.length() - 1) == '(' ? "" : ",").append(parameter.getName());
        }
        return text.append(')').toString();
    }

    private static void face() {
        Class<?> tower = UnwindTower.class;
        Check.same("final", Modifier.isFinal(tower.getModifiers()), true);
        Check.same("constructors", tower.getDeclaredConstructors().length, 1);
        List<String> face = List.of(FACE);
        List<String> found = new ArrayList<>();
        for (Method method : tower.getDeclaredMethods()) {
            String signature = signature(method);
            if (Modifier.isPublic(method.getModifiers())) {
                found.add(signature);
                Check.same(signature + " is of the face", face.contains(signature), true);
            } else {
                Check.same(signature + " is private", Modifier.isPrivate(method.getModifiers()), true);
            }
        }
        Check.same("methods of the face", found.size(), face.size());
        for (Field field : tower.getDeclaredFields()) {
            Check.same(field.getName() + " is private", Modifier.isPrivate(field.getModifiers()), true);
        }
    }

    private static void form(Class<?> one) {
        List<String> names = new ArrayList<>();
        for (String signature : FACE) {
            names.add(signature.substring(0, signature.indexOf('(')));
        }
        for (Method method : one.getDeclaredMethods()) {
            String name = one.getSimpleName() + "." + method.getName();
            Check.same(name + " takes at most 7", method.getParameterCount() <= 7, true);
            boolean isOfFace = Modifier.isPublic(method.getModifiers());
            Check.same(name + " bears a name of the face", names.contains(method.getName()), isOfFace);
        }
        int fields = 0;
        for (Field field : one.getDeclaredFields()) {
            if (!Modifier.isStatic(field.getModifiers())) {
                fields++;
            } else {
                Check.same(field.getName() + " is a constant", field.getType().isPrimitive(), true);
                Check.same(field.getName() + " is final", Modifier.isFinal(field.getModifiers()), true);
            }
        }
        Check.same("fields of " + one.getSimpleName() + ": " + fields, fields <= 20, true);
    }

    private static void text(String source) {
        for (int k = 0; k < source.length(); k++) {
            if (source.charAt(k) > 126) {
                Check.tell("a sign that is none of 1 to 126 at " + k);
            }
        }
        String bare = source.replaceAll("(?s)/\\*.*?\\*/", "").replaceAll("//[^\n]*", "")
                .replaceAll("\"(\\\\.|[^\"\\\\\n])*\"", "0");
        for (String forbidden : FORBIDDEN) {
            Check.same("finds " + forbidden, Pattern.compile(forbidden).matcher(bare).find(), false);
        }
        Matcher imports = Pattern.compile("(?m)^import (.*);$").matcher(bare);
        while (imports.find()) {
            Check.same("import of " + imports.group(1), imports.group(1).equals("java.util.Arrays"), true);
        }
        Matcher arrays = Pattern.compile("Arrays\\.(\\w+)").matcher(bare);
        while (arrays.find()) {
            String name = arrays.group(1).replace(";", "");
            Check.same("Arrays." + name, List.of("fill", "copyOf", "copyOfRange").contains(name), true);
        }
        Map<String, Integer> lengths = new TreeMap<>();
        Matcher methods = Pattern.compile("(?m)^( +)[\\w][\\w<>\\[\\] ]*?(\\w+)\\([^;{}]*\\{\n((?:(?!\\1\\}).*\n)*)\\1\\}")
                .matcher(bare);
        while (methods.find()) {
            lengths.put(methods.group(2), methods.group(3).split("\n").length);
        }
        Check.same("methods that were found", lengths.size() > 80, true);
        lengths.forEach((name, lines) -> Check.same("lines of " + name + ": " + lines, lines <= 60, true));
    }
}
