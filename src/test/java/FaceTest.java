import java.lang.reflect.Constructor;
import java.lang.reflect.Field;
import java.lang.reflect.Member;
import java.lang.reflect.Method;
import java.lang.reflect.Modifier;
import java.util.ArrayList;
import java.util.Arrays;
import java.util.List;
import java.util.TreeSet;
import java.util.stream.Collectors;

/** The class has the document's face and no other member that is not private. */
public final class FaceTest {
    private static final String FACE = """
            NumberOffice(int)
            boolean again(int)
            boolean crash(int)
            boolean deliver(int)
            boolean drop(int)
            boolean flush(int)
            boolean mount(int)
            boolean series(int,int) throws IllegalStateException
            boolean twin(int)
            boolean voidUsed(int,int,int,int) throws IllegalStateException
            int NONE
            int branch(int,int)
            int branchFate(int,int,int)
            int close(int) throws IllegalStateException
            int fate(int,int) throws IllegalStateException
            int invoice(int,int,long,int) throws IllegalStateException
            int letter(int,int)
            int letters()
            int listByte(int,int) throws IllegalStateException
            int report(int,int) throws IllegalStateException
            int request(int,int,int) throws IllegalStateException
            int strike(int) throws IllegalStateException
            int voidNext(int,int,int) throws IllegalStateException
            long invoiceOf(int,int,int) throws IllegalStateException
            long total(int,int) throws IllegalStateException
            """;

    public static void main(String[] args) {
        List<String> faults = new ArrayList<>();
        TreeSet<String> face = new TreeSet<>();
        TreeSet<String> hidden = new TreeSet<>();
        for (Constructor<?> c : NumberOffice.class.getDeclaredConstructors()) {
            sort(c, "NumberOffice(" + types(c.getParameterTypes()) + ")", face, faults);
        }
        for (Field f : NumberOffice.class.getDeclaredFields()) {
            sort(f, f.getType().getSimpleName() + " " + f.getName(), face, faults);
        }
        for (Method m : NumberOffice.class.getDeclaredMethods()) {
            sort(m, told(m), face, faults);
            if (Modifier.isPrivate(m.getModifiers())) {
                hidden.add(m.getName());
            }
        }
        compare(face, faults);
        for (Method m : NumberOffice.class.getDeclaredMethods()) {
            if (Modifier.isPublic(m.getModifiers()) && hidden.contains(m.getName())) {
                faults.add("a private method bears the name " + m.getName());
            }
        }
        if (NumberOffice.NONE != -1 || !Modifier.isFinal(NumberOffice.class.getModifiers())) {
            faults.add("NONE is not -1, or the class is not final");
        }
        faults.forEach(System.out::println);
        System.out.println(faults.size() + " faults of the face");
        if (!faults.isEmpty()) {
            System.exit(1);
        }
    }

    private static void sort(Member member, String told, TreeSet<String> face, List<String> faults) {
        if (Modifier.isPublic(member.getModifiers())) {
            face.add(told);
        } else if (!Modifier.isPrivate(member.getModifiers())) {
            faults.add("neither public nor private: " + told);
        }
    }

    private static void compare(TreeSet<String> face, List<String> faults) {
        TreeSet<String> due = new TreeSet<>(FACE.lines().toList());
        for (String each : due) {
            if (!face.contains(each)) {
                faults.add("not there: " + each);
            }
        }
        for (String each : face) {
            if (!due.contains(each)) {
                faults.add("not of the face: " + each);
            }
        }
    }

    private static String told(Method m) {
        String thrown = m.getExceptionTypes().length == 0
                ? "" : " throws " + types(m.getExceptionTypes());
        return m.getReturnType().getSimpleName() + " " + m.getName()
                + "(" + types(m.getParameterTypes()) + ")" + thrown;
    }

    private static String types(Class<?>[] types) {
        return Arrays.stream(types).map(Class::getSimpleName).collect(Collectors.joining(","));
    }
}
