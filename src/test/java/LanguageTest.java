import java.lang.reflect.Field;
import java.lang.reflect.Method;
import java.lang.reflect.Modifier;
import java.nio.file.Files;
import java.nio.file.Path;
import java.util.ArrayList;
import java.util.Arrays;
import java.util.List;
import java.util.Set;
import java.util.TreeSet;
import java.util.regex.Matcher;
import java.util.regex.Pattern;

/** The face that the document tells, and those rules of LANGUAGE.md that can be seen from the class and its text. */
public final class LanguageTest {
    private static final Due due = new Due();
    private static final String FACE =
        "oven 4,ovenOf 2,change 3,remake 2,longing 2,ends 1,anew 0,state 1,feed 2,rules 0,night 0,on 1,goes 1,often 1,"
        + "placeFor 1,warmFor 1,pairs 0,weddings 1,mate 1,chains 1,best 1,ith 2,ways 1,kept 2,bars 2,game 1,play 1,report 4,"
        + "forget 0,span 1,liar 0,seed 1,lot 0,times 2,prove 1,row 2,alterRow 3,judge 0,sheet 3,write 3,item 3,goAll 3,"
        + "wouldBe 3,shelf 3,taken 2,act 3,trace 1,many 1,keep 0,again 0";

    public static void main(String[] args) throws Exception {
        face();
        classes();
        String source = Files.readString(Path.of("src/main/java/OvenPairs.java"));
        text(source);
        Calls calls = new Calls(source);
        no("rule 11: calls at most eight deep, but " + calls.deepest, calls.deepest.size() > 8);
        no("rule 11: calls were found at all, " + calls.deepest, calls.deepest.size() < 6);
        no("rule 8: not private and static: " + calls.openRecursions, !calls.openRecursions.isEmpty());
        due.end();
    }

    private static void no(String what, boolean found) {
        due.is(what, found ? 1 : 0, 0);
    }

    private static void face() {
        Class<?> c = OvenPairs.class;
        no("rule 1: not public and final", !Modifier.isPublic(c.getModifiers()) || !Modifier.isFinal(c.getModifiers()));
        Set<String> open = new TreeSet<>();
        for (Method m : c.getDeclaredMethods()) {
            if (Modifier.isPrivate(m.getModifiers()) || m.isSynthetic()) continue;
            open.add(m.getName() + " " + m.getParameterCount());
            no(m.getName() + " is no public int", m.getReturnType() != int.class || !Modifier.isPublic(m.getModifiers())
                || Modifier.isStatic(m.getModifiers()));
            for (int k = 0; k < m.getParameterCount(); k++) {
                Class<?> type = m.getName().equals("feed") && k == 0 ? long.class : int.class;
                no("a parameter of " + m.getName(), m.getParameterTypes()[k] != type);
            }
        }
        no("rule 1: " + open, !open.equals(new TreeSet<>(Arrays.asList(FACE.split(",")))));
        Set<String> fields = new TreeSet<>();
        for (Field f : c.getDeclaredFields()) {
            if (!Modifier.isPrivate(f.getModifiers())) fields.add(Modifier.toString(f.getModifiers()) + " " + f.getName());
        }
        String constant = "public static final ";
        no("rule 1: " + fields, !fields.equals(new TreeSet<>(List.of(constant + "BAD", constant + "FULL", constant + "NONE",
            constant + "STATE"))));
        no("rule 1: constructors", c.getConstructors().length != 1 || c.getDeclaredConstructors().length != 1);
        due.is("BAD", OvenPairs.BAD, -1);
        due.is("FULL", OvenPairs.FULL, -2);
        due.is("NONE", OvenPairs.NONE, -3);
        due.is("STATE", OvenPairs.STATE, -4);
    }

    private static void classes() {
        Set<String> open = new TreeSet<>();
        for (String s : FACE.split(",")) open.add(s.substring(0, s.indexOf(' ')));
        List<Class<?>> all = new ArrayList<>(List.of(OvenPairs.class));
        all.addAll(Arrays.asList(OvenPairs.class.getDeclaredClasses()));
        no("rule 11: classes " + all.size(), all.size() > 12);
        for (Class<?> c : all) {
            boolean outer = c == OvenPairs.class;
            no("rule 2: " + c, !outer && (!Modifier.isStatic(c.getModifiers()) || c.getDeclaredClasses().length != 0));
            no("rule 1: " + c, !outer && (Modifier.isPublic(c.getModifiers()) || Modifier.isProtected(c.getModifiers())));
            int fields = 0;
            for (Field f : c.getDeclaredFields()) {
                if (!Modifier.isStatic(f.getModifiers())) fields++;
                else no("rule 5: " + f, !Modifier.isFinal(f.getModifiers())
                    || !List.of("int", "long", "boolean", "char", "String", "int[]", "long[]", "char[]", "byte[]").contains(f.getType().getSimpleName()));
            }
            no("rule 11: fields of " + c, fields > 20);
            for (Method m : c.getDeclaredMethods()) {
                no("rule 11: parameters of " + m, m.getParameterCount() > 7);
                no("rule 1: name of " + m, !Modifier.isPublic(m.getModifiers()) && open.contains(m.getName()));
            }
        }
    }

    private static void text(String source) {
        no("signs above 127", source.chars().anyMatch(c -> c > 126 || c < 32 && c != '\n'));
        String bare = source.replaceAll("(?s)/\\*.*?\\*/", " ").replaceAll("//[^\n]*", " ");
        String code = bare.replaceAll("\"[^\"\n]*\"", "\"\"").replaceAll("'.'", "' '");
        String[] barred = {"throw", "throws", "try", "catch", "finally", "synchronized", "assert", "package", "import", "native",
            "volatile", "transient", "yield", "var", "hashCode", "equals", "toString", "System.out", "Object", "Random"};
        for (String word : barred) {
            no("rules 4, 6: " + word, Pattern.compile("\\b" + Pattern.quote(word) + "\\b").matcher(code).find());
        }
        no("rule 2: lambda", code.contains("->") || code.contains("::"));
        no("rule 10: joined by +", code.contains("\"\" +") || code.contains("+ \"\""));
        no("rule 4: Exact", code.contains("Exact("));
        no("annotations", code.contains("@"));
        Matcher calls = Pattern.compile("\\b(Integer|Long|Math|System|Arrays|String|StringBuilder)\\.(\\w+)").matcher(code);
        Set<String> known = Set.of("bitCount", "numberOfTrailingZeros", "abs", "max", "min", "arraycopy");
        while (calls.find()) no("rule 4: " + calls.group(), !known.contains(calls.group(2)));
        no("rule 12: this is handed out", Pattern.compile("[(,] *this *[,)]|return this;").matcher(code).find());
        // a field's initialiser belongs to the constructor: what it makes of the object it must not hand on
        String field = "(?m)^(?: {4}| {8})(?:private |static )*final [^=\n(]*";
        Matcher handed = Pattern.compile(field + " = new \\w+\\([^)\n]*[a-z][^)\n]*\\);$").matcher(code);
        while (handed.find()) no("rule 12: handed out: " + handed.group().strip(), true);
        String[] lines = source.split("\n");
        for (int k = 0; k < lines.length; k++) {
            String line = lines[k];
            int indent = line.length() - line.stripLeading().length();
            boolean opens = (indent == 4 || indent == 8) && line.endsWith("{") && line.contains("(");
            if (!opens || line.strip().matches("(if|for|while|switch|do)\\b.*")) continue;
            int end = k;
            while (end < lines.length && !lines[end].equals(" ".repeat(indent) + "}")) end++;
            no("rule 11: length of " + line.strip(), end - k > 60);
        }
    }
}
