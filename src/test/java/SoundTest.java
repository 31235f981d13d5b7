import java.lang.reflect.Field;
import java.util.List;

/**
 * Promise 25 from inside: no call can bring a lab to what is not SOUND, so the motes of a grain are put wrong by hand.
 */
public final class SoundTest {
    private static final String[] CLOCKS = {"first", "second"};
    private static final String[] MOTES = {"mothers", "daughters", "gone"};

    private SoundTest() {
    }

    public static void main(String[] args) throws ReflectiveOperationException {
        Grainclock x = Labs.full();
        x.heat(3, 40);
        x.wash(7, 60);
        for (int grain = 0; grain < 8; grain++) {
            for (String clock : CLOCKS) {
                for (String motes : MOTES) {
                    putWrong(x, grain, clock, motes);
                }
            }
        }
        toldByDigest();
        Due.end();
    }

    private static void toldByDigest() throws ReflectiveOperationException {
        Grainclock x = Labs.threeGrains();
        long before = x.digest();
        Object of = inside(((List<?>) inside(x, "grains")).get(1), "second");
        field(of, "gone").setInt(of, 1);
        Due.same("isSound", x.isSound(), false);
        Due.same("the digest is another one", x.digest() == before, false);
        Due.same("with 0 for isSound()", x.digest(), Labs.digestOf(x));
    }

    private static Object inside(Object whole, String name) throws ReflectiveOperationException {
        return field(whole, name).get(whole);
    }

    private static Field field(Object whole, String name) throws ReflectiveOperationException {
        Field field = whole.getClass().getDeclaredField(name);
        field.setAccessible(true);
        return field;
    }

    private static void putWrong(Grainclock x, int grain, String clock, String motes)
            throws ReflectiveOperationException {
        Object of = inside(((List<?>) inside(x, "grains")).get(grain), clock);
        Field number = field(of, motes);
        int right = number.getInt(of);
        String what = motes + " of the " + clock + " clock of grain " + grain;
        for (int wrong = right - 1; wrong <= right + 1; wrong++) {
            number.setInt(of, wrong);
            Due.same(what + " is " + wrong + " for " + right, x.isSound(), wrong == right);
        }
        number.setInt(of, right);
    }
}
