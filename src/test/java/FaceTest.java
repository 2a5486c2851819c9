import java.lang.reflect.Constructor;
import java.lang.reflect.Field;
import java.lang.reflect.Method;
import java.lang.reflect.Modifier;
import java.util.Arrays;
import java.util.Set;
import java.util.TreeSet;

/** The class has the document's face and no other member that can be seen. */
public final class FaceTest {
    private static final String FACE = "sign(int)int end(int)boolean entry(int,int,int)int sheet(int,int,int,int)int "
            + "adds(int,int,int,int,int)int sets(int,int,int,int,int)int refers(int,int,int,int)int "
            + "cuts(int,int,int,int)int shifts(int,int,int)int joins(int)int way(int)int work()int undo()int "
            + "at(int,int,int)int slice(int,int)int gaps(int,int,int,int)int covers(int,int,int)int "
            + "lies(int,int,int,int)int changes(int,int)int rows(int)int longest(int)int free(int,int,int,int)int "
            + "meets(int,int)int lacks(int)int either()int sums(int,int,int)int mean(int,int)int fullest(int)int "
            + "spans(int,int,int)int users(int)int drags(int,int,int)int where(int)int differs(int,int)int "
            + "heard(int,int)int denies()int fits()int asks()int years(int,int)int keep(int)boolean "
            + "again(int)boolean count(int)int row(int)long";

    public static void main(String[] args) {
        Set<String> seen = new TreeSet<>();
        Set<String> hidden = new TreeSet<>();
        Set<String> names = new TreeSet<>();
        gather(PeriodTables.class, seen, hidden, names);
        Due.is("the face", true, seen.equals(new TreeSet<>(Arrays.asList(FACE.split(" ")))));
        for (Class<?> inside : PeriodTables.class.getDeclaredClasses()) {
            Due.is(inside + " is static", true, Modifier.isStatic(inside.getModifiers()));
            Due.is(inside + " is not public", false, Modifier.isPublic(inside.getModifiers()));
            gather(inside, new TreeSet<>(), hidden, new TreeSet<>());
        }
        for (String name : names) {
            Due.is("a private method bears the name of the public " + name, false, hidden.contains(name));
        }
        fieldsAndConstructor();
        Due.finish("FaceTest");
    }

    private static void gather(Class<?> type, Set<String> seen, Set<String> hidden, Set<String> names) {
        for (Method method : type.getDeclaredMethods()) {
            if (Modifier.isPrivate(method.getModifiers())) {
                hidden.add(method.getName());
            } else {
                String types = String.join(",", Arrays.stream(method.getParameterTypes()).map(Class::getName).toList());
                seen.add(method.getName() + "(" + types + ")" + method.getReturnType().getName());
                names.add(method.getName());
            }
        }
    }

    private static void fieldsAndConstructor() {
        Due.is("NONE", -1, PeriodTables.NONE);
        Due.is("final", true, Modifier.isFinal(PeriodTables.class.getModifiers()));
        for (Field field : PeriodTables.class.getDeclaredFields()) {
            boolean face = field.getName().equals("NONE");
            Due.is(field + " can be seen", face, !Modifier.isPrivate(field.getModifiers()));
        }
        Constructor<?>[] constructors = PeriodTables.class.getDeclaredConstructors();
        Due.is("constructors", 1, constructors.length);
        Due.is("its parameters", 0, constructors[0].getParameterCount());
        Due.is("it is public", true, Modifier.isPublic(constructors[0].getModifiers()));
    }
}
