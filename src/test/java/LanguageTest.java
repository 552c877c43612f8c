import java.lang.reflect.Executable;
import java.lang.reflect.Field;
import java.lang.reflect.Method;
import java.lang.reflect.Modifier;
import java.nio.file.Files;
import java.nio.file.Path;
import java.util.ArrayList;
import java.util.HashSet;
import java.util.List;
import java.util.Set;
import java.util.TreeSet;
import java.util.regex.Matcher;
import java.util.regex.Pattern;

/** Looks for breaches of ../shared/LANGUAGE.md that can be seen from the text or the members of the class. */
public final class LanguageTest {
    private static final Path SOURCE = Path.of("src/main/java/FingerSaysFar.java");
    private static final Path DOCUMENT = Path.of("../shared/DOC.md");
    private static final String[] FORBIDDEN = {"\\bthrow\\b", "\\bthrows\\b", "\\btry\\b", "\\bcatch\\b",
        "\\bsynchronized\\b", "\\bassert\\b", "->", "::", "Exact\\b", "\\bprotected\\b", "\\bhashCode\\b",
        "\\btoString\\b", "\\bThread\\b", "\\bRandom\\b", "currentTime", "nanoTime", "\\bObject\\b", "\\bvar\\b"};
    private static int wrong = 0;

    private static void must(boolean holds, String rule) {
        if (!holds) {
            wrong++;
            System.out.println("breach: " + rule);
        }
    }

    public static void main(String[] args) throws Exception {
        String text = Files.readString(SOURCE);
        words(text);
        objectsMade(text);
        lengths(text);
        face();
        members();
        System.out.println(wrong == 0 ? "no breach seen" : wrong + " breaches");
        System.exit(wrong == 0 ? 0 : 1);
    }

    private static void words(String text) {
        String code = text.replaceAll("(?s)/\\*.*?\\*/", "").replaceAll("//.*", "");
        for (String word : FORBIDDEN) {
            must(!Pattern.compile(word).matcher(code).find(), "rules 4, 6, 13: " + word);
        }
        Matcher imports = Pattern.compile("(?m)^import (.*);").matcher(text);
        while (imports.find()) {
            must(imports.group(1).equals("java.util.Arrays"), "rule 4: import " + imports.group(1));
        }
        must(!text.contains("package "), "no package line");
        must(text.chars().allMatch(c -> c == '\n' || c >= 32 && c < 127), "only plain signs");
    }

    /** Everything is made once, with the object: a run of calls takes no further room. */
    private static void objectsMade(String text) {
        for (String line : text.split("\n")) {
            boolean makes = Pattern.compile("\\bnew [A-Za-z]").matcher(line.replaceAll("//.*|\\*.*", "")).find();
            boolean isField = line.matches("\\s+(private )?(final )?(int\\[\\]|long\\[\\]|Shelf\\[\\]|[A-Z]\\w*) \\w+ = new .*;");
            must(!makes || isField || line.trim().equals("shelves[i] = new Shelf();"), "made in a call: " + line.trim());
        }
    }

    private static void lengths(String text) {
        String[] lines = text.split("\n");
        Pattern head = Pattern.compile("^(    |        )((public|private|static|final) )*[\\w\\[\\]]+ \\w+\\(.*\\) \\{$");
        for (int i = 0; i < lines.length; i++) {
            Matcher m = head.matcher(lines[i]);
            if (m.matches()) {
                int end = i;
                while (!lines[end].equals(m.group(1) + "}")) {
                    end++;
                }
                must(end - i < 60, "rule 11: long method: " + lines[i].trim());
            }
        }
    }

    private static void face() throws Exception {
        Set<String> due = new TreeSet<>();
        Matcher m = Pattern.compile("(?m)^    public (int|long) (\\w+)\\((.*)\\);$").matcher(Files.readString(DOCUMENT));
        while (m.find()) {
            due.add(m.group(1) + " " + m.group(2) + "(" + m.group(3).replaceAll(" \\w+(?=,|$)", "") + ")");
        }
        Set<String> seen = new TreeSet<>();
        for (Method method : FingerSaysFar.class.getDeclaredMethods()) {
            if (!Modifier.isPrivate(method.getModifiers())) {
                must(Modifier.isPublic(method.getModifiers()), "rule 1: " + method);
                List<String> types = new ArrayList<>();
                for (Class<?> type : method.getParameterTypes()) {
                    types.add(type.getName());
                }
                seen.add(method.getReturnType() + " " + method.getName() + "(" + String.join(", ", types) + ")");
            }
        }
        must(due.size() == 47, "the document's face has 47 methods, seen " + due.size());
        must(due.equals(seen), "rule 1: the face is " + seen + ", due is " + due);
        Set<String> constants = new TreeSet<>();
        for (Field field : FingerSaysFar.class.getDeclaredFields()) {
            if (!Modifier.isPrivate(field.getModifiers())) {
                constants.add(field.getName());
            }
        }
        must(constants.equals(Set.of("BAD", "NOT", "FULL", "STATE", "VOID")), "rule 1: constants " + constants);
        must(FingerSaysFar.class.getDeclaredConstructors().length == 1, "rule 1: one constructor");
        must(Modifier.isFinal(FingerSaysFar.class.getModifiers()), "rule 1: final");
    }

    private static void members() {
        Set<String> names = new HashSet<>();
        for (Method method : FingerSaysFar.class.getMethods()) {
            if (method.getDeclaringClass() == FingerSaysFar.class) {
                names.add(method.getName());
            }
        }
        List<Class<?>> all = new ArrayList<>(List.of(FingerSaysFar.class.getDeclaredClasses()));
        for (Class<?> inside : all) {
            must(Modifier.isStatic(inside.getModifiers()), "rule 1: static " + inside);
            for (Method method : inside.getDeclaredMethods()) {
                must(!names.contains(method.getName()), "rule 1: name " + method);
            }
        }
        Set<String> own = new HashSet<>();
        all.add(FingerSaysFar.class);
        for (Method method : FingerSaysFar.class.getDeclaredMethods()) {
            must(own.add(method.getName()), "rule 1: a name twice " + method);
        }
        must(all.size() <= 12, "rule 11: classes " + all.size());
        for (Class<?> one : all) {
            int fields = 0;
            for (Field field : one.getDeclaredFields()) {
                boolean isStatic = Modifier.isStatic(field.getModifiers());
                must(!isStatic || Modifier.isFinal(field.getModifiers()), "rule 5: " + field);
                fields += isStatic ? 0 : 1;
            }
            must(fields <= 20, "rule 11: fields of " + one);
            List<Executable> calls = new ArrayList<>(List.of(one.getDeclaredMethods()));
            calls.addAll(List.of(one.getDeclaredConstructors()));
            for (Executable call : calls) {
                must(call.getParameterCount() <= 7, "rule 11: parameters of " + call);
            }
        }
    }
}
