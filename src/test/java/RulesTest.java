import java.lang.management.ManagementFactory;
import java.lang.reflect.Constructor;
import java.lang.reflect.Field;
import java.lang.reflect.Method;
import java.lang.reflect.Modifier;
import java.nio.file.Files;
import java.nio.file.Path;
import java.util.Arrays;
import java.util.TreeSet;
import java.util.regex.Matcher;
import java.util.regex.Pattern;

/** The document's face, and what LANGUAGE.md rules out, as far as a test can see it. */
public final class RulesTest {
    private static final Check C = new Check("RulesTest");
    private static final String[] FACE = {
        "int status()", "int board(int,int,int,int,boolean)", "int judge(int,int,int)", "int told(int,int)",
        "int may(int,int)", "boolean looks(int)", "int plan()", "int sees(int,int)", "int holds(int)",
        "int mark(int,int,int,int)", "boolean lose(int,int)", "int seen(int,int)", "int heap(int,int)",
        "boolean hardness(int,int)", "boolean fair(int,int)", "long upper()", "long lower()",
        "int feed(int,int,int,int,int)", "int prizes(int)", "int fault(int)", "int given(int,int,int)",
        "int hall(int,int,int)", "boolean clear()", "int laid(int)", "int tries()",
    };

    public static void main(String[] args) throws Exception {
        face();
        classesInside();
        source();
        callsMakeNothing();
        C.finish();
    }

    private static void face() {
        C.due("FairHall is public and final", FairHall.class.getModifiers(), Modifier.PUBLIC | Modifier.FINAL);
        C.due("NONE", FairHall.NONE, -1);
        TreeSet<String> want = new TreeSet<>(Arrays.asList(FACE));
        TreeSet<String> got = new TreeSet<>();
        TreeSet<String> names = new TreeSet<>();
        for (Method method : FairHall.class.getDeclaredMethods()) {
            if (Modifier.isPublic(method.getModifiers())) {
                got.add(shape(method));
                names.add(method.getName());
            }
        }
        C.due("the public methods: " + got, got.equals(want), true);
        for (Method method : FairHall.class.getDeclaredMethods()) {
            if (!Modifier.isPublic(method.getModifiers())) {
                C.due(method + " is private", Modifier.isPrivate(method.getModifiers()), true);
                C.due(method + " bears a name of its own", !names.contains(method.getName()), true);
            }
        }
        for (Field field : FairHall.class.getDeclaredFields()) {
            C.due(field + " is private", Modifier.isPrivate(field.getModifiers()) != field.getName().equals("NONE"),
                    true);
        }
        Constructor<?>[] made = FairHall.class.getDeclaredConstructors();
        C.due("one constructor", made.length, 1);
        C.due("without parameters", made[0].getParameterCount(), 0);
    }

    private static String shape(Method method) {
        StringBuilder text = new StringBuilder(method.getReturnType() + " " + method.getName() + "(");
        for (Class<?> type : method.getParameterTypes()) {
            text.append(text.charAt(text.length() - 1) == '(' ? "" : ",").append(type);
        }
        return text + ")";
    }

    private static void classesInside() {
        Class<?>[] inside = FairHall.class.getDeclaredClasses();
        C.due("some twelve classes", inside.length <= 12, true);
        for (Class<?> each : inside) {
            C.due(each + " is static", Modifier.isStatic(each.getModifiers()), true);
            C.due(each + " is not public", !Modifier.isPublic(each.getModifiers()), true);
            int fields = 0;
            for (Field field : each.getDeclaredFields()) {
                boolean fixed = Modifier.isStatic(field.getModifiers());
                fields += fixed ? 0 : 1;
                C.due(field + " is no static state", !fixed || Modifier.isFinal(field.getModifiers()), true);
            }
            C.due(each + " has some twenty fields", fields <= 20, true);
            for (Method method : each.getDeclaredMethods()) {
                C.due(method + " has seven parameters at most", method.getParameterCount() <= 7, true);
            }
        }
    }

    private static void source() throws Exception {
        String text = Files.readString(Path.of("src/main/java/FairHall.java"));
        String code = text.replaceAll("(?s)/\\*.*?\\*/", " ").replaceAll("//[^\n]*", " ");
        String[] ruledOut = {
            "\\b(throw|throws|try|catch|finally|synchronized|assert|import|package|volatile|native|protected)\\b",
            "->", "::", "Exact\\b", "\\bstatic\\s*\\{", "\\bSystem\\.(?!arraycopy)", "\\bvar\\b", "@\\w+",
            "\\b(Object|Exception|Thread|Class|Runtime)\\b", "\\b(NumberFormat|Random|Date)\\b", "\"\\s*\\+",
        };
        for (String pattern : ruledOut) {
            Matcher found = Pattern.compile(pattern).matcher(code);
            boolean is = found.find();
            C.due("the source has " + (is ? "'" + found.group() + "'" : "none of " + pattern), is, false);
        }
        int lines = 0;
        for (String line : text.split("\n")) {
            lines++;
            C.due("line " + lines + " is not too long", line.length() <= 120, true);
        }
    }

    /** All calls of one run live in one room: the rows are made in the constructor, and no call makes any. */
    private static void callsMakeNothing() {
        var bean = (com.sun.management.ThreadMXBean) ManagementFactory.getThreadMXBean();
        long thread = Thread.currentThread().getId();
        dearCalls(new FairHall());
        long start = bean.getThreadAllocatedBytes(thread);
        FairHall x = new FairHall();
        long made = bean.getThreadAllocatedBytes(thread);
        dearCalls(x);
        long called = bean.getThreadAllocatedBytes(thread);
        C.due("a new object is small: " + (made - start) + " bytes", made - start < 32768, true);
        C.due("calls make nothing: " + (called - made) + " bytes", called - made < 1024, true);
    }

    private static void dearCalls(FairHall x) {
        for (int i = 0; i < 24; i++) {
            x.board(i % 8, i % 4, i % 16, 1, i % 2 == 0);
        }
        for (int i = 0; i < 12; i++) {
            x.judge(255, i, 4);
        }
        for (int i = 0; i < 120; i++) {
            x.mark(i % 5, i / 5, i % 101, 0);
        }
        x.feed(0x7072697a, 0x65206265, 0x73742032, 0x34203b20, 0x20202020);
        x.prizes(20);
        for (int i = 0; i < 4; i++) {
            x.hall(24, 5, 12);
            x.looks(i + 1);
            x.plan();
            x.tries();
            x.laid(i);
            x.hardness(i, 0);
            x.fair(i, 0);
            x.given(0, i, 0);
            x.heap(i, 0);
            x.seen(i, 0);
        }
    }
}
