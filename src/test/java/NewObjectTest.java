/** Promise 1: no CODE, no names stored; and what the other calls say of that. */
public final class NewObjectTest {
    public static void main(String[] args) {
        Check check = new Check("NewObjectTest");
        Host host = new Host();
        int[] about = {0, 0, 0, 0, 0, -1, 0, 0};
        for (int what = 0; what < about.length; what++) {
            check.due("about(" + what + ")", host.x.about(what), about[what]);
        }
        check.due("fault()", host.x.fault(), -1);
        check.due("again()", host.x.again(), false);
        for (int n : new int[] {-1, 0, 1, 200, 201}) {
            check.due("run(" + n + ")", host.run(n), "IllegalStateException");
        }
        check.due("result", host.result(), "nothing");
        check.due("stack", host.stack(0), "nothing");
        check.due("local", host.local(0), "nothing");
        for (String name : new String[] {"", "a", "range", "typ", "over"}) {
            check.due("global of " + name, host.global(name), "nothing");
        }
        check.due("the tape's length", host.x.feed(0, 1), 1);

        Host other = new Host();
        other.ending(new Asm(0, 0, 2).load(1).op(Asm.DUP).put("a").op(Asm.RETURN));
        check.due("names of the one", other.x.about(7), 1);
        check.due("names of another one", new Host().x.about(7), 0);
        check.end();
    }
}
