import com.sun.management.ThreadMXBean;
import java.lang.management.ManagementFactory;
import java.lang.reflect.Constructor;
import java.lang.reflect.Field;
import java.lang.reflect.Method;
import java.lang.reflect.Modifier;
import java.nio.file.Files;
import java.nio.file.Path;
import java.util.ArrayList;
import java.util.Arrays;
import java.util.List;
import java.util.Set;
import java.util.TreeSet;
import java.util.regex.Matcher;
import java.util.regex.Pattern;

/** The face is the document's and no other, and the file keeps to those rules of LANGUAGE.md that can be looked up. */
public final class LanguageTest {
    private static final Checks CHECKS = new Checks();
    private static final String SOURCE = "src/main/java/HedgeRecord.java";
    private static final String FACE = "int feed(int,int,int,int,int) int end(int) int hedge() int fault(int) int bill(int,int) "
        + "int stake(int,int) int law(int) int stands() int falls(int) int lay(int,int,int,int,int) int repeal(int,int,int) "
        + "int pull(int) int trim(int,int) int year() boolean undo() boolean redo() int will(int,int) int lapse(int) "
        + "int dies(int) int living(int) int clashes() int weed(int) int places(int,int,int) int gaps() int widest() "
        + "int closes(int) int walk(int,int) int plan(int,int) int joy(int) int saddest() int game() int lies(int) "
        + "int ring(int,int,boolean) boolean untell(int) int later(int) int orders(int) int sure(int,int) int ask(int,int) "
        + "int image(int) int back(int) int about(int)";

    public static void main(String[] args) throws Exception {
        face();
        classes();
        source();
        room();
        CHECKS.finish();
    }

    private static void look(String what, boolean isSo) {
        CHECKS.due(what, isSo, true);
    }

    private static void face() {
        Set<String> found = new TreeSet<>();
        for (Method m : HedgeRecord.class.getDeclaredMethods()) {
            if (!Modifier.isPrivate(m.getModifiers())) {
                List<String> types = new ArrayList<>();
                for (Class<?> type : m.getParameterTypes()) {
                    types.add(type.getName());
                }
                found.add(m.getReturnType() + " " + m.getName() + "(" + String.join(",", types) + ")");
                look("public and not static: " + m, m.getModifiers() == Modifier.PUBLIC);
            }
        }
        Set<String> wanted = new TreeSet<>(Arrays.asList(FACE.split("(?<=\\)) ")));
        look("rule 1: the methods are " + wanted + ", found " + found, found.equals(wanted));
        look("rule 1: final", Modifier.isFinal(HedgeRecord.class.getModifiers()));
        Constructor<?>[] constructors = HedgeRecord.class.getDeclaredConstructors();
        look("rule 1: one public constructor", constructors.length == 1 && Modifier.isPublic(constructors[0].getModifiers()));
        for (Field f : HedgeRecord.class.getDeclaredFields()) {
            look("rule 1: field " + f, Modifier.isPrivate(f.getModifiers()) || f.getName().equals("NONE"));
        }
    }

    private static List<Class<?>> allClasses() {
        List<Class<?>> all = new ArrayList<>(List.of(HedgeRecord.class.getDeclaredClasses()));
        all.add(HedgeRecord.class);
        return all;
    }

    private static void classes() {
        Set<String> faceNames = new TreeSet<>();
        for (Method m : HedgeRecord.class.getMethods()) {
            faceNames.add(m.getName());
        }
        look("rule 11: classes", allClasses().size() <= 12);
        for (Class<?> c : allClasses()) {
            look("rule 2: static " + c, c == HedgeRecord.class || Modifier.isStatic(c.getModifiers()));
            int fields = 0;
            for (Field f : c.getDeclaredFields()) {
                if (Modifier.isStatic(f.getModifiers())) {
                    look("rule 5: " + f, Modifier.isFinal(f.getModifiers()));
                } else {
                    fields++;
                }
            }
            look("rule 11: fields of " + c + ": " + fields, fields <= 20);
            for (Method m : c.getDeclaredMethods()) {
                look("rule 11: parameters of " + m, m.getParameterCount() <= 7);
                look("rule 2: no lambda " + m, !m.isSynthetic());
                boolean isFace = c == HedgeRecord.class && Modifier.isPublic(m.getModifiers());
                look("rule 1: a name of the face " + m, isFace || !faceNames.contains(m.getName()));
            }
        }
    }

    private static void source() throws Exception {
        String text = Files.readString(Path.of(SOURCE));
        String code = text.replaceAll("(?s)/\\*.*?\\*/", "").replaceAll("//[^\n]*", "").replaceAll("\"[^\"\n]*\"", "\"\"");
        for (String word : ("throw throws try catch finally synchronized assert import package native volatile transient "
            + "Exact new\\s+int\\[\\]\\s*\\{ ->  :: System\\.(?!arraycopy) Object Override interface hashCode toString").split(" +")) {
            look("rule 3 to 6: no " + word, !Pattern.compile(Character.isLetter(word.charAt(0)) && !word.contains("\\")
                ? "\\b" + word + "\\b" : word).matcher(code).find());
        }
        for (int i = 0; i < text.length(); i++) {
            if (text.charAt(i) > 126) {
                look("rule 4: sign " + (int) text.charAt(i), false);
            }
        }
        Matcher start = Pattern.compile("(?m)^( {4}| {8})(?:private |public |static |final )*[\\w\\[\\]]+ ?\\w*\\([^;]*\\) \\{$").matcher(code);
        int methods = 0;
        while (start.find()) {
            int end = code.indexOf("\n" + start.group(1) + "}\n", start.end());
            int lines = code.substring(start.start(), end).split("\n").length + 1;
            methods++;
            look("rule 11: " + lines + " lines of " + start.group().trim(), lines <= 60);
        }
        look("rule 11: methods were found: " + methods, methods > 120);
    }

    /** What a call makes stays for a whole run, so calls make nothing. */
    private static void room() {
        ThreadMXBean machine = (ThreadMXBean) ManagementFactory.getThreadMXBean();
        HedgeRecord x = Checks.told("stakes 6;plant p life 9;plant q life 4 hardy;topic s;topic t;bill a of p at 0 says s 1;"
            + "bill b of q at 1 says s 2 amends a;party r;party g;wants r s 4 by 2;wants g s 0 by 3;grow not (near>1)+1;");
        byte[] text = "topic t;topic u;grow (life+1)*2 and not near;".getBytes();
        long sum = 0;
        long made = 0;
        for (int i = 0; i < 3; i++) {
            Checks.tape(x, text);
            long before = machine.getThreadAllocatedBytes(Thread.currentThread().getId());
            sum += everything(x);
            made = machine.getThreadAllocatedBytes(Thread.currentThread().getId()) - before;
            x = Checks.told("stakes 6;plant p life 9;topic s;bill a of p at 0 says s 1;party r;wants r s 4 by 2;grow near;");
        }
        look("rule 12: calls make nothing, but made " + made + " bytes (" + sum + ")", made == 0);
    }

    private static long everything(HedgeRecord x) {
        long sum = x.lay(0, 0, 0, 5, -1) + x.repeal(1, 0, 0) + x.pull(0) + x.trim(0, 1) + x.year();
        sum += (x.undo() ? 1 : 0) + (x.redo() ? 1 : 0) + x.will(0, 9) + x.lapse(0) + x.dies(0) + x.living(5) + x.clashes();
        sum += x.weed(0) + x.weed(1) + x.places(0, 0, 2) + x.gaps() + x.widest() + x.closes(2) + x.walk(0, 5) + x.plan(3, 2);
        sum += x.joy(0) + x.saddest() + x.game() + x.lies(0) + x.ring(0, 1, true) + x.later(1) + (x.untell(0) ? 1 : 0);
        sum += x.orders(0) + x.sure(0, 0) + x.ask(0, 0) + x.image(0) + x.back(0) + x.stands() + x.falls(0) + x.law(0);
        for (int what = 0; what < 15; what++) {
            sum += x.about(what) + x.bill(0, what) + x.stake(0, what) + x.fault(what);
        }
        return sum + x.hedge() + x.feed(1, 2, 3, 4, 5) + x.end(3) + x.hedge();
    }
}
